/** Promise 4: every kind of FAULT and its place, marked by ^, and what is just no FAULT. */
public final class FaultTest {
    public static void main(String[] args) {
        Check check = new Check();
        tokens(check);
        declarations(check);
        names(check);
        setsDataAndVars(check);
        limitsOfThings(check);
        sums(check);
        indices(check);
        places(check);
        secondHolders(check);
        depth(check);
        endsTooEarly(check);
        wholeLength(check);
        modelStays(check);
        check.end();
    }

    private static void tokens(Check check) {
        check.rows("", 0);
        check.rows(" \n \n", 0);
        check.rows("set abcd=0..7;", 0);
        check.rows("set\na\n=\n0\n..\n7\n;\n", 0);
        check.rows("set a=0..1;", 0);
        check.fault("^seta=0..1;");
        check.fault("set ^abcde=0..1;");
        check.fault("set ^abcdefghij=0..1;");
        check.fault("set a=^12345..1;");
        check.fault("set a=^0000000000000..1;");
        check.rows("set a=0000..0001;", 0);
        check.fault("set a=9999 ..^10000;");
        check.fault("set a = 0 ^. . 1;");
        check.fault("set a = 0 ^. 1;");
        check.fault("set a = 0..^.1;");
        check.fault("rule r: 1 ^< 2;");
        check.fault("rule r: 1 ^> 2;");
        check.fault("rule r: 1 ^< = 2;");
        check.fault("rule r: 1 =^< 2;");
        check.fault("rule r: 1 >=^= 2;");
        check.rows("rule r:1<=2;", 1);
        check.rows("rule r:1>=2;", 1);
        check.rows("rule r:1=2;", 1);
        check.fault("^\t");
        check.fault("^\rset");
        check.fault(" ^\0");
        check.fault("set ^A=0..1;");
        check.fault("set a^_b=0..1;");
        check.fault("^\u00e4");
        check.fault("set a^1=0..1;");
        check.fault("set a=1^a..2;");
        check.fault("^/");
        check.fault("^{");
        check.fault("^`");
    }

    private static void declarations(Check check) {
        check.fault("^a");
        check.fault("^;");
        check.fault("^1");
        check.fault("^min 1;");
        check.fault("set a=0..1;^;");
        check.fault("set a=0..1; ^a");
        check.fault("set^");
        check.fault("set \n ^");
        check.fault("set a^");
        check.fault("set a=0..1^");
        check.fault("set a=0..1 ^set b=0..1;");
        check.fault("set a^:0..1;");
        check.fault("set a=^-1..1;");
        check.fault("set a=^..1;");
        check.fault("set a=0^,1;");
        check.fault("set a=0..^-1;");
        check.fault("set a=0..1^..2;");
        check.fault("rule r ^1<=2;");
        check.fault("rule r:1^;");
        check.fault("rule r:1<=2^<=3;");
        check.fault("rule r:1^..2;");
        check.fault("rule r:^<=2;");
        check.fault("rule r:1<=^;");
        check.fault("goal ^1;");
        check.fault("goal ^sum(1);");
        check.fault("goal min ^;");
        check.fault("goal min 1^<=2;");
        check.fault("goal min ^max");
        check.fault("goal min 1;^goal max 2;");
        check.fault("goal min 1;set a=0..1;^goal");
        check.rows("goal max 1;rule r:1=1;", 1);
    }

    private static void names(Check check) {
        check.fault("set ^in=0..1;");
        check.fault("set ^set=0..1;");
        check.fault("data ^sum=1;");
        check.fault("var ^for in 0..1;");
        check.fault("rule ^max:1=1;");
        check.fault("set ^5=0..1;");
        check.fault("set a=0..1;set ^a=0..1;");
        check.fault("set a=0..1;data ^a=1;");
        check.fault("data a=1;var ^a in 0..1;");
        check.fault("var a in 0..1;rule ^a:1=1;");
        check.fault("rule a:1=1;set ^a=0..1;");
        check.fault("rule a:1=1;rule ^a:1=1;");
        check.rows("set ab=0..1;set a=0..1;set ba=0..1;set abab=0..1;", 0);
        check.rows("set sets=0..1;data dat=1;var inn in 0..1;", 0);
    }

    private static void setsDataAndVars(Check check) {
        check.rows("set a=1..8;", 0);
        check.fault("set a=1..^9;");
        check.fault("set a=0..^9999;");
        check.rows("set a=9999..9999;", 0);
        check.rows("set a=5..4;", 0);
        check.fault("set a=5..^3;");
        check.fault("set a=1 .. ^9 @");
        check.fault("data d[^b]=1;");
        check.fault("data d[^1]=1;");
        check.fault("data d[^d]=1;");
        check.fault("data a=1;data d[^a]=1;");
        check.fault("set a=0..1;data d[^]=1;");
        check.fault("set a=0..1;data d[a^;");
        check.fault("set a=0..1;data d[a,^]=1;");
        check.fault("set a=0..1;data d[a,a^,a]=1;");
        check.fault("set a=0..1;data d[a,^b]=1;");
        check.fault("data d ^in 1;");
        check.fault("data d[^=1;");
        check.fault("set a=0..1;data d[a,^=1;");
        check.fault("var x[^in 0..1;");
        check.rows("data d=-0;", 0);
        check.fault("data d=^;");
        check.fault("data d=1 ^2;");
        check.fault("data d=1 ^-2;");
        check.fault("data d=-^-1;");
        check.fault("data d=^+1;");
        check.fault("data d=-^;");
        check.rows("set a=0..1;data d[a]=1-2;", 0);
        check.fault("set a=0..1;data d[a]=1^;");
        check.fault("set a=0..1;data d[a]=1^,2;");
        check.rows("set a=0..1;data d[a,a]=1 2-3 4;", 0);
        check.fault("set a=0..1;data d[a,a]=1 2-3 4^-5;");
        check.rows("set a=1..0;data d[a]=;", 0);
        check.fault("set a=1..0;data d[a]=^1;");
        check.rows("set a=1..0;set b=0..7;data d[b,a]=;data e[a,b]=;", 0);
        check.fault("var x ^= 0..1;");
        check.fault("var x in ^;");
        check.fault("var x in 0 ^1;");
        check.fault("var x in 0..^;");
        check.rows("var x in -3..-3;", 0);
        check.fault("var x in -3..^-4;");
        check.fault("var x in -3.. ^- \n 4 @");
        check.fault("var x in 3..-^;");
        check.fault("var x in 3..-^@");
        check.fault("var x in 1..^0;");
        check.fault("var x in 0..1^,");
    }

    private static void limitsOfThings(Check check) {
        String sets = "set a=0..1;set b=0..1;set c=0..1;set d=0..1;set e=0..1;set f=0..1;";
        check.rows(sets, 0);
        check.fault(sets + "set ^g=0..1;");
        check.fault(sets + "set ^;");
        String data = "data a=1;data b=1;data c=1;data d=1;data e=1;data f=1;";
        check.rows(data, 0);
        check.fault(data + "data ^g=1;");
        String vars = "var a in 0..1;var b in 0..1;var c in 0..1;var d in 0..1;var e in 0..1;var f in 0..1;";
        check.rows(vars, 0);
        check.fault(vars + "var ^g in 0..1;");
        StringBuilder rules = new StringBuilder();
        for (char c = 'a'; c < 'k'; c++) {
            rules.append("rule ").append(c).append(":1=1;");
        }
        check.rows(rules.toString(), 10);
        check.fault(rules + "rule ^k:1=1;");
        check.rows(rules + "set k=0..1;goal min 1;", 10);
    }

    private static void sums(Check check) {
        String x = "var x in 0..1;data c=2;set s=0..1;var y[s] in 0..1;";
        check.rows(x + "rule r:-x+1-c*2*x=-1;", 1);
        check.fault(x + "rule r:^+x=1;");
        check.fault(x + "rule r:-^-x=1;");
        check.fault(x + "rule r:x+^-1=1;");
        check.fault(x + "rule r:2*^-x=1;");
        check.fault(x + "rule r:2 ^x=1;");
        check.fault(x + "rule r:2*^*x=1;");
        check.fault(x + "rule r:2*^=1;");
        check.fault(x + "rule r:^z=1;");
        check.fault(x + "rule r:^s=1;");
        check.fault(x + "rule r:^r=1;");
        check.fault(x + "rule q:1=1;rule r:^q=1;");
        check.fault(x + "rule r:y[0^,1]=1;");
        check.fault(x + "rule r:x^[0]=1;");
        check.fault(x + "rule r:c^[0]=1;");
        check.fault(x + "rule r:y^=1;");
        check.fault(x + "rule r:(^)=1;");
        check.fault(x + "rule r:(x^=1);");
        check.fault(x + "rule r:(x)^)=1;");
        check.fault(x + "rule r:(x^;");
        check.fault(x + "rule r:^in=1;");
        check.rows(x + "rule r:((x))=(1);", 1);
        check.fault("goal min 1+^");
        check.fault("goal min (1^");
    }

    private static void indices(Check check) {
        String s = "set s=0..1;set t=0..2;";
        check.fault("rule r for ^r in s");
        check.fault(s + "rule r for ^s in s:1=1;");
        check.fault(s + "rule r for ^: 1=1;");
        check.fault(s + "rule r for i^: 1=1;");
        check.fault(s + "rule r for i in ^i: 1=1;");
        check.fault(s + "rule r for i in ^r: 1=1;");
        check.fault(s + "rule r for i in ^0..1: 1=1;");
        check.fault(s + "rule r for i in s, ^i in t: 1=1;");
        check.fault(s + "rule r for i in s, ^: 1=1;");
        check.fault(s + "rule r for i in s, j in ^i: 1=1;");
        check.fault(s + "rule r for i in s, j in t^, k in s: 1=1;");
        check.rows(s + "rule r for i in s,j in t:i=j;", 6);
        check.fault(s + "rule r for i in s:sum(^i in t:1)=1;");
        check.fault(s + "rule r:sum(^r in t:1)=1;");
        check.fault(s + "rule r:sum ^i in t:1=1;");
        check.fault(s + "rule r:sum(^1)=1;");
        check.fault(s + "rule r:sum(i in t^)=1;");
        check.fault(s + "rule r:sum(i in t,j in s^,k in s:1)=1;");
        check.fault(s + "rule r:sum(i in t:^)=1;");
        check.fault(s + "rule r:sum(i in t:1^;");
        check.fault(s + "rule r:sum(i in t:i)=^i;");
        check.fault(s + "rule r for i in s:1=1;rule q:^i=1;");
        check.fault(s + "rule r for i in s:1=1;goal min ^i;");
        check.fault(s + "rule r for i in s:i=^j;");
        check.rows(s + "rule r for i in s:i=i;rule q for i in t:i=i;", 5);
        check.rows(s + "rule r:sum(i in s:i)=sum(i in t:i)+sum(i in s,j in t:i*j);", 1);
        check.rows(s + "rule r for i in s:1=1;set i=0..1;data j=1;", 2);
        check.fault(s + "rule r:1=1;set i=0..1;rule q for ^i in s:1=1;");
        check.fault(s + "rule r:sum(i in s:sum(^i in t:1))=1;");
        check.rows(s + "goal min sum(i in s:sum(j in t:i*j)+sum(j in s:j));", 0);
    }

    private static void places(Check check) {
        String v = "set s=1..3;set t=2..3;set e=4..3;var x[s] in 0..1;data d[t,s]=1 2 3 4 5 6;var n[e] in 0..1;";
        check.rows(v + "goal min x[1]+x[3]+d[2,1]+d[3,3];", 0);
        check.fault(v + "goal min x[^0];");
        check.fault(v + "goal min x[^4];");
        check.fault(v + "goal min d[^1,1];");
        check.fault(v + "goal min d[2,^4];");
        check.fault(v + "goal min d[2^];");
        check.fault(v + "goal min d^*2;");
        check.fault(v + "goal min x[^-1];");
        check.fault(v + "goal min x[1^+1];");
        check.fault(v + "goal min x[^d];");
        check.fault(v + "goal min x[^s];");
        check.fault(v + "goal min x[^i];");
        check.fault(v + "goal min x[^];");
        check.fault(v + "goal min x[1^;");
        check.fault(v + "goal min n[^4];");
        check.fault(v + "goal min n[^3];");
        check.rows(v + "goal min sum(i in t:x[i]);", 0);
        check.fault(v + "goal min sum(i in s:d[^i,1]);");
        check.rows(v + "goal min sum(i in s:d[2,i]);", 0);
        check.rows(v + "goal min sum(i in e:n[i]+x[i]+d[i,i]);", 0);
        check.fault(v + "goal min sum(i in s:n[^i]);");
        check.rows(v + "rule r for i in t,j in s:x[j]=d[i,j];", 6);
        check.fault(v + "rule r for i in t,j in s:x[i]=d[^j,i];");
        check.fault(v + "set u=3..4;goal min sum(i in u:x[^i]);");
        check.fault(v + "set u=0..1;goal min sum(i in u:x[^i]);");
        check.fault(v + "set u=0..4;goal min sum(i in u:x[^i]);");
        check.fault(v + "set u=1..4;goal min sum(i in u:x[^i]);");
    }

    private static void secondHolders(Check check) {
        String v = "var x in 0..1;set s=1..2;set e=1..0;var y[s] in 0..1;var z[e] in 0..1;";
        check.fault(v + "goal min x*^x;");
        check.fault(v + "goal min x*2*^x*3;");
        check.fault(v + "goal min x*^y[1];");
        check.fault(v + "goal min x*y[^3];");
        check.fault(v + "goal min x*y[1^,2];");
        check.fault(v + "goal min x*^y[1]@");
        check.fault(v + "goal min x*^x[1];");
        check.fault(v + "goal min x* ^(1+x);");
        check.fault(v + "goal min (x)*^((x));");
        check.fault(v + "goal min x*(1+x^@);");
        check.fault(v + "goal min x*(1+x^;");
        check.fault(v + "goal min x*(x*^x);");
        check.fault(v + "goal min x*(1+^q);");
        check.fault(v + "goal min x*^sum(i in s:y[i]);");
        check.fault(v + "goal min sum(i in s:y[i])*^x;");
        check.fault(v + "goal min sum(i in e:z[i])*^sum(i in e:z[i]);");
        check.fault(v + "goal min (x-x)*^(x-x);");
        check.fault(v + "goal min 0*x*^x;");
        check.fault(v + "goal min x*(2)*sum(i in s:i)*^x;");
        check.rows(v + "goal min x*(1+2)*sum(i in s:i)+x*2+3*(x+1)*4;", 0);
        check.rows(v + "goal min (x+x)+(x-x)-x*2;", 0);
    }

    private static void depth(Check check) {
        check.rows("goal min ((((((((1))))))));", 0);
        check.fault("goal min ((((((((^(1)))))))));");
        check.fault("goal min 1+((((((((2*^(1)))))))));");
        check.rows("goal min ((((((((1))))))))*((((((((1))))))));", 0);
        String s = "set s=0..0;goal min ";
        check.rows(s + "sum(a in s:sum(b in s:sum(c in s:sum(d in s:"
                + "sum(e in s:sum(f in s:sum(g in s:sum(h in s:1))))))));", 0);
        check.fault(s + "sum(a in s:sum(b in s:sum(c in s:sum(d in s:"
                + "sum(e in s:sum(f in s:sum(g in s:sum(h in s:^sum(i in s:1)))))))));");
        check.fault(s + "((((sum(a in s:(((^sum(b in s:1))))))));");
        check.fault(s + "(((((((sum(a in s:^(1)))))))));");
        check.rows(s + "(((((((sum(a in s:1))))))));", 0);
        check.rows("set s=0..0;rule r for z in s,y in s:((((((((1))))))))=((((((((1))))))));", 1);
        check.rows(s + "sum(a in s,b in s:sum(c in s,d in s:sum(e in s,f in s:sum(g in s,h in s:"
                + "sum(i in s,j in s:sum(k in s,l in s:sum(m in s,n in s:sum(o in s,p in s:a+p))))))));", 0);
    }

    /** Behind each TOKEN of a declaration but its last one the end can't stand, nor another declaration. */
    private static void endsTooEarly(Check check) {
        String[] declarations = {"set s = 1 .. 2 ;", "data c = - 5 ;", "data d [ s ] = 1 - 2 ;",
            "data e [ s , s ] = 1 2 3 - 4 ;", "var x in 0 .. 3 ;", "var y [ s ] in - 3 .. - 1 ;",
            "var z [ s , s ] in 0 .. 1 ;", "rule p : 1 <= x ;",
            "rule q for i in s : y [ i ] * ( c + 1 ) = e [ i , 2 ] ;",
            "rule r for i in s , j in s : - sum ( k in s , l in s : z [ k , l ] ) - i >= z [ i , j ] * j ;",
            "goal max sum ( i in s : d [ i ] * y [ i ] ) - 7 ;"};
        StringBuilder ahead = new StringBuilder();
        for (String declaration : declarations) {
            String[] tokens = declaration.split(" ");
            StringBuilder begun = new StringBuilder(ahead);
            for (int i = 0; i < tokens.length - 1; i++) {
                begun.append(tokens[i]);
                check.fault(begun + "^");
                check.fault(begun + " \n^");
                check.fault(begun + " ^set t=0..1;");
                check.fault(begun + " ^@");
                begun.append(' ');
            }
            // only what later declarations speak of is kept, for the room
            ahead.append(declaration.startsWith("rule") ? "" : declaration.replace(" ;", ";"));
        }
    }

    private static void wholeLength(Check check) {
        String most = "goal min 1" + "+1".repeat(194);
        check.rows(most + ";\n", 0);
        check.rows(most + "; ", 0);
        check.fault(most + ";^1");
        check.fault(most + "+1^");
        check.fault(most + "+^*");
        check.fault("^" + ";".repeat(400));
        check.rows(" ".repeat(390) + "goal min1;", 0);
    }

    private static void modelStays(Check check) {
        ProblemTexts x = Check.model("set s=1..2;data c[s]=3 4;var x[s] in -1..5;goal min sum(i in s:c[i]*x[i])+1;"
                + "rule r for i in s:x[i]<=c[i];");
        x.put(1, 4);
        x.print(1);
        String before = Check.state(x);
        String[] wrong = {"@", "set t=0..1;var q in 0..1;rule w:q=1;x", "goal max 1;goal", "rule r:1=1;rule s:2"};
        for (int i = 0; i < wrong.length; i++) {
            check.due("a fault in " + wrong[i], Check.read(x, wrong[i]) <= -10 ? 1 : 0, 1);
            check.due("the state behind " + wrong[i], Check.state(x), before);
        }
    }
}
