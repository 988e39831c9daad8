import java.lang.reflect.Array;
import java.lang.reflect.Field;
import java.lang.reflect.Modifier;
import java.util.ArrayDeque;
import java.util.Collections;
import java.util.Deque;
import java.util.IdentityHashMap;
import java.util.Set;

/** All calls of one run live in one room: what an object and its dearest calls put there stays far below its limit. */
public final class RoomTest {
    private static final int MOST_OBJECTS = 600000, MOST_ELEMENTS = 7300000;
    /** As many new objects as a run could have, if each were used for one call alone. */
    private static final int NEW_OBJECTS = 512;

    /** What can be reached from an object: how many objects and arrays, and their fields and elements in all. */
    private static final class Room {
        private final Set<Object> seen = Collections.newSetFromMap(new IdentityHashMap<>());
        private final Deque<Object> open = new ArrayDeque<>();
        int elements;

        Room(Object from) throws IllegalAccessException {
            reach(from);
            while (!open.isEmpty()) {
                Object next = open.remove();
                if (next.getClass().isArray()) {
                    addArray(next);
                } else {
                    addFields(next);
                }
            }
        }

        int objects() {
            return seen.size();
        }

        private void reach(Object object) {
            if (object != null && seen.add(object)) {
                open.add(object);
            }
        }

        private void addArray(Object array) {
            elements += Array.getLength(array);
            if (!array.getClass().getComponentType().isPrimitive()) {
                for (Object element : (Object[]) array) {
                    reach(element);
                }
            }
        }

        private void addFields(Object object) throws IllegalAccessException {
            for (Field field : object.getClass().getDeclaredFields()) {
                if (!Modifier.isStatic(field.getModifiers())) {
                    elements++;
                    field.setAccessible(true);
                    if (!field.getType().isPrimitive()) {
                        reach(field.get(object));
                    }
                }
            }
        }
    }

    public static void main(String[] args) throws IllegalAccessException {
        Check.run(RoomTest.class);
    }

    private static void below(Check check, String told, int got, int most) {
        check.due(told + ", " + got + ", are at most " + most, got <= most ? 1 : 0, 1);
    }

    private static int feed(ProblemTexts x, String text) {
        int calls = 0;
        for (int from = 0; from < text.length(); from += 8) {
            String piece = text.substring(from, Math.min(text.length(), from + 8));
            x.feed(piece.length(), Scene.word(piece));
            calls++;
        }
        return calls;
    }

    static void newObjects(Check check) throws IllegalAccessException {
        Room room = new Room(new ProblemTexts());
        below(check, "objects of a new one", room.objects(), MOST_OBJECTS / NEW_OBJECTS / 2);
        below(check, "elements of a new one", room.elements, MOST_ELEMENTS / NEW_OBJECTS / 2);
    }

    /** Texts with as many FACTORS, PARTS and ( as there is room for; what a read makes is not used again. */
    static void reads(Check check) throws IllegalAccessException {
        String[] dear = {"goal min 1" + "+1".repeat(194) + ";", "goal min 1" + "*1".repeat(194) + ";",
            "goal min (1)" + "+(1)".repeat(96) + ";", "goal min ((((((((1))))))))" + "+((((((((1))))))))".repeat(20) + ";"};
        for (String text : dear) {
            ProblemTexts x = new ProblemTexts();
            Room before = new Room(x);
            int calls = feed(x, text) + 1;
            check.due("read of " + text, x.read(), 0);
            Room behind = new Room(x);
            int reads = Scene.MOST_CALLS / calls;
            below(check, "objects of reads", reads * (behind.objects() - before.objects()), MOST_OBJECTS / 100);
            below(check, "elements of reads", reads * (behind.elements - before.elements), MOST_ELEMENTS / 100);
        }
    }

    /** No call but read makes anything that stays. */
    static void otherCalls(Check check) throws IllegalAccessException {
        ProblemTexts x = new ProblemTexts();
        feed(x, "set s=1..8;set t=1..5;var x[s,t] in 0..1;rule r for i in s,j in t:x[i,j]<=1;goal min x[1,1];");
        check.due("read()", x.read(), 40);
        Room before = new Room(x);
        for (int row = 0; row < 40; row++) {
            x.print(row);
            x.put(row, 1);
            x.left(row);
            x.broken(row);
            x.feed(8, row);
        }
        x.cut(0);
        x.worth();
        Room behind = new Room(x);
        check.due("objects", behind.objects(), before.objects());
        check.due("elements", behind.elements, before.elements);
    }
}
