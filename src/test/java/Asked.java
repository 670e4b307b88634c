/** Whatever answers the calls of ../shared/DOC.md. */
interface Asked {
    long ask(String name, long... numbers);

    /** All that can be asked of it without a refusal, but for how many refusals there were. */
    static String look(Asked x) {
        StringBuilder text = new StringBuilder();
        for (int what = 0; what < 8; what++) {
            tell(text, x, "status", what);
        }
        for (int s = 0; s < 8; s++) {
            long held = tell(text, x, "holds", s);
            for (int i = 0; i < 40 && held >= 0 && held <= 4; i++) {
                tell(text, x, "element", s, i);
            }
        }
        long visitors = x.ask("status", 0);
        for (int visitor = 0; visitor < visitors; visitor++) {
            for (int what = 0; what < 5; what++) {
                tell(text, x, "visitorOf", visitor, what);
            }
        }
        long cells = x.ask("status", 1);
        for (int cell = 0; cell < cells; cell++) {
            for (int what = 0; what < 3; what++) {
                tell(text, x, "cellOf", cell, what);
            }
        }
        return text.toString();
    }

    private static long tell(StringBuilder text, Asked x, String name, long... numbers) {
        long answer = x.ask(name, numbers);
        text.append(name);
        for (long number : numbers) {
            text.append(' ').append(number);
        }
        text.append(": ").append(answer).append('\n');
        return answer;
    }
}
