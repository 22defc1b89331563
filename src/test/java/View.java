/** All that can be seen of a grove, as a text: two groves with the same text are in the same state. */
final class View {
    private final Run run;
    private final StringBuilder text = new StringBuilder();

    private View(Run run) {
        this.run = run;
    }

    /** The run is of no use afterwards: the lists of undone revisions are seen only by redoing them. */
    static String of(Run run) {
        View view = new View(run);
        view.lookAtFigures();
        view.lookAtRevisions();
        view.lookAtUndone();
        return view.text.toString();
    }

    private String look(String call) {
        String answer = run.ask(call);
        text.append(call).append(" = ").append(answer).append('\n');
        return answer;
    }

    private void lookAtFigures() {
        for (int k = 0; k <= 7; k++) {
            look("figure(" + k + ")");
        }
    }

    /** Of most revisions only what differs from the present one: a run of 60 has no calls left for more. */
    private void lookAtRevisions() {
        int present = Integer.parseInt(run.ask("figure(0)"));
        int count = Integer.parseInt(run.ask("figure(1)"));
        lookAtFields(present, 255);
        for (int r = 0; r < count; r++) {
            look("parent(" + r + ", false)");
            look("parent(" + r + ", true)");
            lookAtFields(r, Integer.parseInt(look("differ(" + present + ", " + r + ")")));
        }
    }

    private void lookAtFields(int r, int fields) {
        for (int f = 0; f < 8; f++) {
            if ((fields >> f & 1) != 0) {
                int last = Integer.parseInt(f < 6 ? "0" : run.ask("value(" + r + ", " + f + ", -1)")) - 1;
                for (int i = -1; i <= last; i++) {
                    look("value(" + r + ", " + f + ", " + i + ")");
                }
            }
        }
    }

    private void lookAtUndone() {
        for (int b = 0; b <= 3; b++) {
            look("turn(" + b + ")");
            for (int left = Integer.parseInt(look("figure(3)")); left > 0; left--) {
                look("redo()");
            }
            look("redo()");
        }
    }
}
