import java.util.Arrays;

/** One call of the public face, told by its name and numbers, so that a run of calls can be made again. */
record Call(String name, long... args) {
    long on(ProblemTexts x) {
        switch (name) {
            case "feed":
                return x.feed(at(0), args[1]);
            case "cut":
                return x.cut(at(0));
            case "read":
                return x.read();
            case "name":
                return x.name(at(0), at(1), at(2));
            case "set":
                return x.set(at(0), at(1));
            case "data":
                return x.data(at(0), at(1), at(2));
            case "column":
                return x.column(at(0), at(1), at(2));
            case "about":
                return x.about(at(0), at(1));
            case "row":
                return x.row(at(0), at(1));
            case "factor":
                return x.factor(at(0), at(1));
            default:
                return shorter(x);
        }
    }

    private long shorter(ProblemTexts x) {
        switch (name) {
            case "right":
                return x.right(at(0));
            case "price":
                return x.price(at(0));
            case "count":
                return x.count(at(0));
            case "put":
                return x.put(at(0), at(1));
            case "left":
                return x.left(at(0));
            case "holds":
                return x.holds(at(0));
            case "broken":
                return x.broken(at(0));
            case "worth":
                return x.worth();
            case "print":
                return x.print(at(0));
            case "out":
                return x.out(at(0));
            default:
                throw new IllegalStateException("the face has no call " + name);
        }
    }

    private int at(int i) {
        return Math.toIntExact(args[i]);
    }

    @Override
    public String toString() {
        return name + Arrays.toString(args).replace('[', '(').replace(']', ')');
    }
}
