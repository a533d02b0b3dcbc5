/** Promises 13 and 14: how many ints were printed, and the last sixteen of them; and 7, the lines kept. */
public final class PrintTest {
    public static void main(String[] args) {
        lastSixteen();
        onlyInts();
        lines();
        Script.end();
    }

    private static void lastSixteen() {
        Script s = new Script();
        Script.due("at first", s.host.prints(), 0);
        for (int count = 1; count <= 40; count++) {
            s.runs("print " + count + "-20", HostedScript.DONE, 0);
            Script.due("prints", s.host.prints(), count);
            for (int back = -2; back <= 18; back++) {
                int due = back < 0 || back > 15 || back >= count ? 0 : count - 20 - back;
                Script.due("printed(" + back + ") of " + count, s.host.printed(back), due);
            }
        }
        Script.due("far back", s.host.printed(Integer.MAX_VALUE), 0);
        Script.due("far ahead", s.host.printed(Integer.MIN_VALUE), 0);
        // Many in one run.
        s.runs("n=0\nwhile n<60:\n print n\n n=n+1", HostedScript.DONE, 0);
        Script.due("a hundred", s.host.prints(), 100);
        for (int back = 0; back < 16; back++) {
            Script.due("printed(" + back + ")", s.host.printed(back), 59 - back);
        }
    }

    private static void onlyInts() {
        Script s = new Script();
        s.runs("print none", HostedScript.TYPE, 1);
        s.runs("print X()", HostedScript.TYPE, 2);
        s.runs("print q", HostedScript.NAME, 3);
        Script.due("nothing printed", s.host.prints(), 0);
        s.runs("print 1\nprint 2\nprint none\nprint 3", HostedScript.TYPE, 6);
        Script.due("two printed", s.host.prints(), 2);
        Script.due("the last", s.host.printed(0), 2);
        s.runs("print 4\nprint", HostedScript.WRONG, 9);
        Script.due("none printed by a wrong chunk", s.host.prints(), 2);
    }

    private static void lines() {
        Script s = new Script();
        Script.due("at first", s.host.lines(), 0);
        s.put("a=1\nb=2");
        Script.due("pending lines do not count", s.host.lines(), 0);
        s.host.run();
        Script.due("two", s.host.lines(), 2);
        s.host.run();
        Script.due("an empty chunk has a line", s.host.lines(), 3);
        s.runs("\n\n   \n", HostedScript.DONE, 0);
        Script.due("blank lines count", s.host.lines(), 7);
        s.runs("\nq\n", HostedScript.NAME, 9);
        Script.due("a chunk with an error counts", s.host.lines(), 10);
        s.runs("while 1:\n pass", HostedScript.STEPS, 11);
        Script.due("and one that took too many steps", s.host.lines(), 12);
        s.runs("pass\n=", HostedScript.WRONG, 14);
        Script.due("a wrong chunk does not", s.host.lines(), 12);
        s.call('a', 'f', 1);
        Script.due("nor a host call", s.host.lines(), 12);
    }
}
