/** The example of README.md, line by line. */
public final class ReadmeTest {
    public static void main(String[] args) {
        LazyKrivine x = new LazyKrivine(32, 240);
        int argument = x.add(LazyKrivine.VARIABLE, 0, 0, 0);
        int outer = x.add(LazyKrivine.VARIABLE, 1, 0, 0);
        int sum = x.add(LazyKrivine.ADD, outer, argument, 0);
        int inner = x.add(LazyKrivine.LAMBDA, sum, 0, 0);
        int plus = x.add(LazyKrivine.LAMBDA, inner, 0, 0);
        int five = x.add(LazyKrivine.LITERAL, 5, 0, 0);

        Checks.ends("start(plus, 100)", x, x.start(plus, 100), LazyKrivine.FUNCTION, plus, 1);
        Checks.ends("supply(five)", x, x.supply(five), LazyKrivine.FUNCTION, inner, 3);
        Checks.due("captured(0)", x.captured(0), five);
        Checks.ends("supply(five) again", x, x.supply(five), LazyKrivine.INTEGER, 10, 9);
        Checks.finish();
    }
}
