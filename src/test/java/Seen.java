/** What calls answered, or threw, one behind another, as one text that can be compared with another object's. */
final class Seen {
    private final StringBuilder answers = new StringBuilder();

    Seen ask(Check.Call... calls) {
        for (Check.Call call : calls) {
            try {
                answers.append(call.run()).append(' ');
            } catch (RuntimeException e) {
                answers.append(e.getClass().getSimpleName()).append(' ');
            }
        }
        return this;
    }

    @Override
    public String toString() {
        return answers.toString();
    }
}
