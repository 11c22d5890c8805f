import java.util.function.Supplier;

/** Promises 5 to 7 and 9 to 13: what only answers changes nothing, whatever it is asked and however often. */
public final class QuestionTest {
    private interface Question {
        int ask(CodeCacheMachine x, int argument);
    }

    public static void main(String[] args) {
        changesNothing("executed", (x, ignored) -> x.executed());
        changesNothing("peek", CodeCacheMachine::peek);
        changesNothing("register", CodeCacheMachine::register);
        changesNothing("place", (x, ignored) -> x.place());
        changesNothing("look", CodeCacheMachine::look);
        changesNothing("translated", CodeCacheMachine::translated);
        changesNothing("printed", (x, ignored) -> x.printed());
        changesNothing("output", CodeCacheMachine::output);
        Due.finish();
    }

    private static void changesNothing(String name, Question question) {
        for (Supplier<CodeCacheMachine> maker : Machines.busyStates()) {
            Shot.changesNothing(name, maker, x -> answersAlike(name, question, x));
        }
    }

    private static void answersAlike(String name, Question question, CodeCacheMachine x) {
        for (int argument : Machines.EDGES) {
            int first = question.ask(x, argument);
            Due.due(name + " with " + argument + ", asked again", question.ask(x, argument), first);
        }
    }
}
