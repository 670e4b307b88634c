/** The calls of ../shared/DOC.md, so that something can stand between a test and the object. */
interface Face {
    int row(int s, int sort, int n);

    int set(int s, int i, long v);

    int copy(int p, int q, int i, int j, int n);

    long element(int s, int i);

    int holds(int s);

    int show(int s, int visitor);

    int says(int s, int kind);

    int paves(int n);

    int visitor(int kind, int a, int want);

    int wants(int visitor, int v);

    int mark(int cell, int what, int v);

    int tell(int what, int v);

    int feed(int letter);

    int wipe();

    int view();

    int visitorOf(int visitor, int what);

    int cellOf(int cell, int what);

    int open(int visitor, int group);

    int shown(int visitor, int group);

    int known(int group);

    int fresh(int group);

    int veilThen(int group);

    int send(int k);

    int fewest(int told);

    int order(int group, int i);

    int how(int visitor, int cell);

    int lifted(int visitor, int cell, int what);

    int register(int s, int n, int cell, int what);

    int fits(int s, int n, int visitor, int what);

    int together();

    int needed();

    int picture(int s, int n, int visitor);

    int lift(int n, int what);

    int chance(int visitor, int cell);

    int mean(int visitor);

    int hidden();

    int best(int what);

    int mate(int visitor);

    int rarest(int what);

    int both(int visitor, int other);

    int visitsTill(int visitor, int cell);

    int who(int cell);

    int company(int visitor);

    int spoiler(int group);

    int split(int group, int what);

    int couple();

    int secret(int cell);

    int rank(int i);

    int blind(int veil);

    int shyest(int told);

    int alike(int visitor, int other);

    int ofKind(int kind);

    int judge(int s, int n);

    int behind(int s, int n, int what);

    int visit(int group);

    int days(int n);

    int seed(int v);

    int image();

    int back();

    int status(int what);
}
