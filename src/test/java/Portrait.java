import java.util.ArrayList;
import java.util.List;
import java.util.function.Supplier;

/**
 * All that can be found out of the state of an object: what it answers, and what it answers when one goes on with it.
 * Every part asks an object of its own, made anew, for an object is good for 512 calls only.
 */
final class Portrait {
    private final Supplier<LinkPredictor> scene;
    private final List<Integer> answers = new ArrayList<>();

    private Portrait(Supplier<LinkPredictor> scene) {
        this.scene = scene;
    }

    static List<Integer> of(Supplier<LinkPredictor> scene) {
        Portrait portrait = new Portrait(scene);
        portrait.drawCounts();
        portrait.drawHierarchy();
        portrait.drawReferences();
        portrait.drawWritten();
        for (int build = 0; build < 2; build++) {
            portrait.drawSelections(build);
            portrait.drawNumbers(build);
            portrait.drawParents(build);
            for (int d = 0; d < 12; d++) {
                for (int r = 0; r < 12; r++) {
                    portrait.drawMembers(build, d, r);
                }
            }
        }
        return portrait.answers;
    }

    private void add(int answer) {
        answers.add(answer);
    }

    private void add(boolean answer) {
        answers.add(answer ? 1 : 0);
    }

    private void drawCounts() {
        LinkPredictor x = scene.get();
        for (int what = 0; what <= 6; what++) {
            add(x.count(0, what));
            add(x.count(1, what));
        }
        add(x.forget());
    }

    private void drawHierarchy() {
        LinkPredictor x = scene.get();
        for (int t = 0; t < 12; t++) {
            add(x.load(0, t));
            add(x.load(1, t));
            for (int u = 0; u < 12; u++) {
                add(x.isUnder(0, t, u));
                add(x.isUnder(1, t, u));
            }
        }
    }

    private void drawReferences() {
        LinkPredictor x = scene.get();
        for (int i = 0; i <= 16; i++) {
            add(x.resolve(0, i));
            add(x.resolve(1, i));
            add(x.compare(i));
            for (int what = 0; what < 4; what++) {
                add(x.receivers(i, what));
            }
        }
        add(x.refer(Sorts.TYPE, 0, 0, 0));
    }

    private void drawSelections(int build) {
        LinkPredictor x = scene.get();
        for (int i = 0; i < 16; i++) {
            for (int c = 0; c < 12; c++) {
                add(x.select(build, i, c));
            }
        }
    }

    private void drawWritten() {
        LinkPredictor x = scene.get();
        add(x.type(11, 1, 0, 0, 0));
        add(x.count(0, 0));
        add(x.count(1, 0));
    }

    /** Which MEMBERS are GONE, and which number comes next. */
    private void drawNumbers(int build) {
        LinkPredictor x = scene.get();
        x.write(build);
        add(x.member(0, true, 13, 3, 0));
        for (int m = 0; m < 30; m++) {
            add(x.remove(m));
        }
    }

    /** What a TYPE can be for a new one below it. */
    private void drawParents(int build) {
        LinkPredictor x = scene.get();
        x.write(build);
        for (int t = 0; t < 11; t++) {
            x.type(11, 1, 0, t, 0);
            add(x.load(build, 11));
            x.type(11, 1, 0, 0, 1 << t);
            add(x.load(build, 11));
        }
    }

    /** What d comes to when it names MEMBERS by way of r. */
    private void drawMembers(int build, int d, int r) {
        LinkPredictor x = scene.get();
        for (int sign : Scenes.SIGNS) {
            x.forget();
            for (int kind = 0; kind <= 8; kind++) {
                add(x.resolve(build, x.refer(kind, d, r, sign)));
            }
        }
    }
}
