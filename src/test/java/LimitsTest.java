/** Promises 1 and 2: the limits of a new object, and how tokens are put. */
public final class LimitsTest {
    public static void main(String[] args) {
        constants();
        freshObject();
        objects();
        steps();
        depth();
        tokensAreCounted();
        tokensAreRefused();
        Script.end();
    }

    private static void constants() {
        int[] kinds = {HostedScript.DONE, HostedScript.WRONG, HostedScript.NAME, HostedScript.TYPE, HostedScript.ATTR,
            HostedScript.ZERO, HostedScript.DEPTH, HostedScript.MEMORY, HostedScript.RAISED, HostedScript.STEPS};
        for (int at = 0; at < kinds.length; at++) {
            Script.due("constant " + at, kinds[at], at);
        }
        Script.due("REFUSED", HostedScript.REFUSED, -1);
    }

    private static void freshObject() {
        Script s = new Script();
        Script.due("result at first", s.host.result(), 0);
        Script.due("place at first", s.host.place(), 0);
        Script.due("lines at first", s.host.lines(), 0);
        Script.due("prints at first", s.host.prints(), 0);
        Script.due("printed at first", s.host.printed(0), 0);
        Script.due("live at first", s.host.live(), 0);
        Script.due("tokens at first", s.host.put(0, 0, 0, 0), 0);
        for (char c = 'a'; c <= 'z'; c++) {
            Script.due("variable at first", s.variable(c), 0);
            Script.due("entry of the host's class " + c, s.entry(0, c), c == 'h' || c == 't' ? Script.METHOD : 0);
            Script.due("entry of class 1 at first", s.entry(1, c), 0);
        }
        for (char c = 'A'; c <= 'Z'; c++) {
            Script.due("named at first " + c, s.named(c), c == 'X' ? 0 : -1);
        }
        s.order(0, 0);
        s.order(1);
    }

    /** How many objects can be held at once. */
    private static void objects() {
        int[][] cases = {{Integer.MIN_VALUE, 2}, {-1, 2}, {1, 2}, {2, 2}, {3, 3}, {7, 7}, {8, 8}, {9, 8},
            {Integer.MAX_VALUE, 8}};
        for (int[] c : cases) {
            Script s = new Script(c[0], 200, 6);
            s.runs("class A:\n pass\nn=0\nx=none\nwhile 1:\n a=A()\n a.x=x\n x=a\n n=n+1", HostedScript.MEMORY, 6);
            Script.due("objects with limit " + c[0], s.variable('n'), Script.number(c[1]));
            Script.due("live with limit " + c[0], s.host.live(), c[1]);
        }
    }

    private static void steps() {
        int[][] cases = {{Integer.MIN_VALUE, 20}, {19, 20}, {20, 20}, {21, 21}, {199, 199}, {200, 200}, {201, 200},
            {Integer.MAX_VALUE, 200}};
        for (int[] c : cases) {
            Script s = new Script(8, c[0], 6);
            // One step for the first line, then the while line and the line in its block by turns.
            s.runs("n=0\nwhile 1:\n n=n+1", HostedScript.STEPS, c[1] % 2 == 0 ? 3 : 2);
            Script.due("turns with limit " + c[0], s.variable('n'), Script.number((c[1] - 1) / 2));
            // The next run has all its steps again.
            s.runs("n=0\nwhile n<" + (c[1] - 2) / 2 + ":\n n=n+1", HostedScript.DONE, 0);
        }
    }

    private static void depth() {
        int[][] cases = {{Integer.MIN_VALUE, 2}, {1, 2}, {2, 2}, {3, 3}, {5, 5}, {6, 6}, {7, 6}, {Integer.MAX_VALUE, 6}};
        for (int[] c : cases) {
            Script s = new Script(8, 200, c[0]);
            s.runs("class A:\n def f(v,x):\n  v.n=x\n  return v.f(x+1)\na=A()\na.f(1)", HostedScript.DEPTH, 4);
            Script.due("calls with limit " + c[0], s.attribute('a', 'n'), Script.number(c[1]));
            s.calls('a', 'f', 1, HostedScript.DEPTH, 0, 4);
            Script.due("host calls with limit " + c[0], s.attribute('a', 'n'), Script.number(c[1]));
        }
    }

    private static void tokensAreCounted() {
        Script s = new Script();
        Script.due("four tokens", s.host.put(100, 26, 1001, 40), 4);
        Script.due("0 is skipped", s.host.put(0, 101, 0, 26), 6);
        Script.due("no token", s.host.put(0, 0, 0, 0), 6);
        Script.due("one token", s.host.put(0, 0, 0, 1007), 7);
        Script.due("run", s.host.run(), HostedScript.DONE);
        Script.due("a", s.variable('a'), Script.number(1));
        Script.due("b", s.variable('b'), Script.number(7));
        Script.due("kept tokens", s.host.put(0, 0, 0, 0), 7);
        Script.due("more tokens", s.host.put(5, 0, 0, 0), 8);
        Script.due("wrong run", s.host.run(), HostedScript.WRONG);
        Script.due("tokens of a wrong chunk are dropped", s.host.put(0, 0, 0, 0), 7);
        s.runs("q", HostedScript.NAME, 3);
        Script.due("tokens of a chunk that ends in an error are kept", s.host.put(0, 0, 0, 0), 8);
        s.put("c=3");
        Script.due("a host call leaves the chunk", s.call('q', 'f', 1), HostedScript.NAME);
        Script.due("tokens after a host call", s.host.put(0, 0, 0, 0), 11);
        Script.due("run after a host call", s.host.run(), HostedScript.DONE);
        Script.due("c", s.variable('c'), Script.number(3));
    }

    private static void tokensAreRefused() {
        Script s = new Script();
        for (int at = 0; at < 99; at++) {
            s.host.put(40, 40, 40, 40);
        }
        Script.due("396 tokens", s.host.put(0, 0, 0, 0), 396);
        Script.due("398 tokens", s.host.put(40, 100, 0, 0), 398);
        Script.due("401 tokens", s.host.put(26, 1001, 40, 0), HostedScript.REFUSED);
        Script.due("402 tokens", s.host.put(26, 1001, 40, 40), HostedScript.REFUSED);
        Script.due("nothing has changed", s.host.put(0, 0, 0, 0), 398);
        Script.due("400 tokens", s.host.put(0, 26, 0, 1005), 400);
        Script.due("one more", s.host.put(0, 0, 40, 0), HostedScript.REFUSED);
        Script.due("none more", s.host.put(0, 0, 0, 0), 400);
        Script.due("run of 400 tokens", s.host.run(), HostedScript.DONE);
        Script.due("a", s.variable('a'), Script.number(5));
        Script.due("lines of 400 tokens", s.host.lines(), 398);
        Script.due("kept tokens count too", s.host.put(100, 0, 0, 0), HostedScript.REFUSED);
        Script.due("an empty chunk still runs", s.host.run(), HostedScript.DONE);
        Script.due("and has a line", s.host.lines(), 399);
    }
}
