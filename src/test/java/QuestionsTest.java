import java.lang.management.ManagementFactory;
import java.util.ArrayList;
import java.util.List;

/**
 * What is asked changes nothing, whatever is asked ahead of it and in between, and one object knows nothing of another;
 * and what 512 calls make stays small. The worlds and the look are those of RefusalsTest.
 */
public final class QuestionsTest {
    private static final char[] WORLDS = {'E', 'B', 'R', 'F', 'T'};

    public static void main(String[] args) {
        questionsChangeNothing();
        anyOrder();
        actsChangeTheTraceAlone();
        imageChangesNothingElse();
        sideBySide();
        newBesideOthers();
        room();
        Due.end();
    }

    private static void due(String call, long got, long want) {
        Due.due(call, got, want);
    }

    // ---- the questions

    private static void add(List<RefusalsTest.Call> all, RefusalsTest.Call... more) {
        all.addAll(List.of(more));
    }

    /** One of each kind of question and more of those that reckon in rows; the laws, stuffs and doings differ. */
    private static List<RefusalsTest.Call> questions() {
        List<RefusalsTest.Call> all = new ArrayList<>();
        add(all, x -> x.of(0, 0), x -> x.of(1, 1), x -> x.told(0, 3), x -> x.told(1, 11), x -> x.told(0, 12));
        add(all, x -> x.winds(0, 0, 100503, 0), x -> x.winds(1, 1, 350399, 1), x -> x.winds(0, 1, 602000, 2));
        for (int law = 0; law <= 2; law++) {
            int l = law;
            add(all, x -> x.run(l, 0, 0), x -> x.run(l, 1, 1), x -> x.run(l, 0, 2), x -> x.run(l, 0, 101));
            add(all, x -> x.run(l, 1, 202), x -> x.run(l, 0, 300), x -> x.run(l, 1, 302));
            add(all, x -> x.curve(l, 0, 3, 20, true), x -> x.curve(l, 1, 3, 20, false), x -> x.curve(l, 0, 20, 60, true));
            add(all, x -> x.jumps(l, 0, 3, 1, 0), x -> x.jumps(l, 1, 3, 2, 1), x -> x.several(l, 0, 3, 0));
            add(all, x -> x.several(l, 1, 3, 1), x -> x.several(l, 0, 4, 2));
            add(all, x -> x.order(l, 0, 100500, 1), x -> x.order(l, 1, 300300, 3), x -> x.order(l, 0, 50300, 4));
            for (int place = -1; place <= 2; place++) {
                int i = place;
                add(all, x -> x.found(l, 0, 100500, 99, i), x -> x.found(l, 1, 300300, 5, i));
            }
            add(all, x -> x.bears(l, 0, 100503, 3), x -> x.bears(l, 1, 300303, -1));
            add(all, x -> x.off(l), x -> x.fits(l, 9), x -> x.two(l, 0, 1, 20, 305), x -> x.two(l, 1, 1, 5, 2020));
            add(all, x -> x.read(l, 0, 3, 11, 1, 0), x -> x.read(l, 1, 3, 5, 0, 1), x -> x.read(l, 0, 5, 6, 4, 2));
            add(all, x -> x.as(l, 2), x -> x.as(l, 0));
        }
        add(all, x -> x.which(), x -> x.next(0, 3), x -> x.next(1, 20), x -> x.trace(0), x -> x.trace(5));
        add(all, x -> x.count(3), x -> x.count(6));
        return all;
    }

    private static List<Integer> answers(HoneyWinds x, List<RefusalsTest.Call> questions) {
        List<Integer> answers = new ArrayList<>();
        for (RefusalsTest.Call q : questions) {
            answers.add(q.on(x));
        }
        return answers;
    }

    private static void questionsChangeNothing() {
        Due.sentence("Nothing is promised beyond the answers and state changes described above");
        List<RefusalsTest.Call> questions = questions();
        for (char world : WORLDS) {
            HoneyWinds x = RefusalsTest.world(world);
            answers(x, questions);
            boolean same = RefusalsTest.lookAtAll(x).equals(RefusalsTest.lookAtAll(RefusalsTest.world(world)));
            due("world " + world + ": what was asked changed something", same ? 0 : 1, 0);
        }
    }

    private static void anyOrder() {
        Due.sentence("an answer is by what there is, not by what was asked ahead");
        List<RefusalsTest.Call> questions = questions();
        for (char world : WORLDS) {
            for (int i = 0; i < questions.size(); i++) {
                HoneyWinds x = RefusalsTest.world(world);
                int due = questions.get(i).on(RefusalsTest.world(world));
                for (int j = 0; j < questions.size(); j++) {
                    questions.get(j).on(x);
                    due("world " + world + ", question " + i + " behind question " + j, questions.get(i).on(x), due);
                }
            }
        }
    }

    // The worlds end with act(1, 2, 5).
    private static void actsChangeTheTraceAlone() {
        Due.sentence("act: .. ; THE TRACE: the numbers of the bodies that ran in the latest act()");
        for (char world : WORLDS) {
            for (int law = -1; law <= 8; law++) {
                for (int act = -1; act <= 3; act++) {
                    HoneyWinds x = RefusalsTest.world(world);
                    x.act(law, act, 1000 * law - act);
                    x.act(1, 2, 5);
                    boolean same = RefusalsTest.lookAtAll(x).equals(RefusalsTest.lookAtAll(RefusalsTest.world(world)));
                    due("world " + world + ": act(" + law + ", " + act + ", ..) changed more", same ? 0 : 1, 0);
                }
            }
        }
    }

    private static void imageChangesNothingElse() {
        Due.sentence("THE IMAGE is taken: how many LAWS there are.");
        List<RefusalsTest.Call> questions = questions();
        for (char world : WORLDS) {
            HoneyWinds x = RefusalsTest.world(world);
            due("world " + world + ": image()", x.image(), x.count(1));
            List<Integer> due = answers(RefusalsTest.world(world), questions);
            due("world " + world + ": image() changed something", answers(x, questions).equals(due) ? 0 : 1, 0);
            due("world " + world + ": undo()", x.undo(), x.count(1));
            due("world " + world + ": undo() behind it changed something", answers(x, questions).equals(due) ? 0 : 1, 0);
        }
    }

    // ---- objects

    private static void sideBySide() {
        Due.sentence("the same calls on one object answer the same, whatever is done on another");
        List<RefusalsTest.Call> questions = questions();
        for (char one : WORLDS) {
            for (char other : WORLDS) {
                HoneyWinds x = RefusalsTest.world(one);
                HoneyWinds y = RefusalsTest.world(other);
                List<Integer> due = answers(RefusalsTest.world(one), questions);
                List<Integer> got = new ArrayList<>();
                for (RefusalsTest.Call q : questions) {
                    y.tick(10100);
                    y.act(0, 1, 7);
                    q.on(y);
                    got.add(q.on(x));
                }
                due("world " + one + " beside " + other + " answers otherwise", got.equals(due) ? 0 : 1, 0);
            }
        }
    }

    private static void newBesideOthers() {
        Due.sentence("No STUFFS, no LAWS.");
        HoneyWinds full = RefusalsTest.world('F');
        full.image();
        HoneyWinds x = new HoneyWinds();
        for (int what = 0; what <= 6; what++) {
            due("a new object: count(" + what + ")", x.count(what), 0);
        }
        due("a new object: undo()", x.undo(), -3);
        due("a new object: trace(0)", x.trace(0), -1);
        due("a new object: its first STUFF", x.stuff(3, 3), 0);
        due("the other's STUFF 0", full.of(0, 0), 4);
        due("a new object: its first LAW", Due.law(x, 3, 3, "heap 3"), 0);
        due("the other's LAW 0", full.told(0, 0), 5);
        due("the other: undo()", full.undo(), 8);
    }

    // ---- the room

    /** The dearest runs of calls: laws of the longest code again and again, undone by an image that holds their tape. */
    private static void room() {
        Due.sentence("All calls of one run live in ONE room: .. 7.3 million fields and elements in all");
        // Once ahead of the measure, so that no class is loaded within it.
        manyLaws();
        manyQuestions();
        due("calls that make laws: bytes", Math.max(500000, bytesOf(QuestionsTest::manyLaws)), 500000);
        due("calls that ask: bytes", Math.max(60000, bytesOf(QuestionsTest::manyQuestions)), 60000);
    }

    private static void manyLaws() {
        HoneyWinds x = new HoneyWinds();
        Due.feed(x, ("wind 1 " + "h>1|".repeat(28)).substring(0, 118));
        x.image();
        for (int i = 0; i < 247; i++) {
            x.law(4, 9);
            x.undo();
        }
    }

    private static void manyQuestions() {
        HoneyWinds x = new HoneyWinds();
        x.stuff(5, 5);
        for (int i = 0; i < 8; i++) {
            x.feed(0x68656170203930L, 7);
            x.law(4, 9);
            x.want(0);
            x.tick(10100);
        }
        for (int i = 0; i < 79; i++) {
            x.run(0, 0, 1);
            x.several(0, 0, 5, 0);
            x.found(0, 0, 100500, 99, -1);
            x.read(0, 0, 5, 1, 0, 0);
            x.next(0, 5);
            x.act(0, 2, 5);
        }
    }

    private static long bytesOf(Runnable calls) {
        com.sun.management.ThreadMXBean threads = (com.sun.management.ThreadMXBean) ManagementFactory.getThreadMXBean();
        long self = Thread.currentThread().getId();
        long ahead = threads.getThreadAllocatedBytes(self);
        calls.run();
        return threads.getThreadAllocatedBytes(self) - ahead;
    }
}
